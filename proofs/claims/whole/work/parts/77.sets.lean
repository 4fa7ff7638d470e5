/-! SETS OF GUESTS AS NUMBERS; HOW A PROMISE IS STATED -/
def bcS (x0 : Int32) : Int32 := ((((((((x0 - (((Int32.toUInt32 x0 >>> (Int32.toUInt32 (1 : Int32) &&& Int32.toUInt32 31)).toInt32) &&& (1431655765 : Int32))) &&& (858993459 : Int32)) + (((Int32.toUInt32 (x0 - (((Int32.toUInt32 x0 >>> (Int32.toUInt32 (1 : Int32) &&& Int32.toUInt32 31)).toInt32) &&& (1431655765 : Int32))) >>> (Int32.toUInt32 (2 : Int32) &&& Int32.toUInt32 31)).toInt32) &&& (858993459 : Int32))) + ((Int32.toUInt32 (((x0 - (((Int32.toUInt32 x0 >>> (Int32.toUInt32 (1 : Int32) &&& Int32.toUInt32 31)).toInt32) &&& (1431655765 : Int32))) &&& (858993459 : Int32)) + (((Int32.toUInt32 (x0 - (((Int32.toUInt32 x0 >>> (Int32.toUInt32 (1 : Int32) &&& Int32.toUInt32 31)).toInt32) &&& (1431655765 : Int32))) >>> (Int32.toUInt32 (2 : Int32) &&& Int32.toUInt32 31)).toInt32) &&& (858993459 : Int32))) >>> (Int32.toUInt32 (4 : Int32) &&& Int32.toUInt32 31)).toInt32)) &&& (252645135 : Int32)) + ((Int32.toUInt32 (((((x0 - (((Int32.toUInt32 x0 >>> (Int32.toUInt32 (1 : Int32) &&& Int32.toUInt32 31)).toInt32) &&& (1431655765 : Int32))) &&& (858993459 : Int32)) + (((Int32.toUInt32 (x0 - (((Int32.toUInt32 x0 >>> (Int32.toUInt32 (1 : Int32) &&& Int32.toUInt32 31)).toInt32) &&& (1431655765 : Int32))) >>> (Int32.toUInt32 (2 : Int32) &&& Int32.toUInt32 31)).toInt32) &&& (858993459 : Int32))) + ((Int32.toUInt32 (((x0 - (((Int32.toUInt32 x0 >>> (Int32.toUInt32 (1 : Int32) &&& Int32.toUInt32 31)).toInt32) &&& (1431655765 : Int32))) &&& (858993459 : Int32)) + (((Int32.toUInt32 (x0 - (((Int32.toUInt32 x0 >>> (Int32.toUInt32 (1 : Int32) &&& Int32.toUInt32 31)).toInt32) &&& (1431655765 : Int32))) >>> (Int32.toUInt32 (2 : Int32) &&& Int32.toUInt32 31)).toInt32) &&& (858993459 : Int32))) >>> (Int32.toUInt32 (4 : Int32) &&& Int32.toUInt32 31)).toInt32)) &&& (252645135 : Int32)) >>> (Int32.toUInt32 (8 : Int32) &&& Int32.toUInt32 31)).toInt32)) + ((Int32.toUInt32 ((((((x0 - (((Int32.toUInt32 x0 >>> (Int32.toUInt32 (1 : Int32) &&& Int32.toUInt32 31)).toInt32) &&& (1431655765 : Int32))) &&& (858993459 : Int32)) + (((Int32.toUInt32 (x0 - (((Int32.toUInt32 x0 >>> (Int32.toUInt32 (1 : Int32) &&& Int32.toUInt32 31)).toInt32) &&& (1431655765 : Int32))) >>> (Int32.toUInt32 (2 : Int32) &&& Int32.toUInt32 31)).toInt32) &&& (858993459 : Int32))) + ((Int32.toUInt32 (((x0 - (((Int32.toUInt32 x0 >>> (Int32.toUInt32 (1 : Int32) &&& Int32.toUInt32 31)).toInt32) &&& (1431655765 : Int32))) &&& (858993459 : Int32)) + (((Int32.toUInt32 (x0 - (((Int32.toUInt32 x0 >>> (Int32.toUInt32 (1 : Int32) &&& Int32.toUInt32 31)).toInt32) &&& (1431655765 : Int32))) >>> (Int32.toUInt32 (2 : Int32) &&& Int32.toUInt32 31)).toInt32) &&& (858993459 : Int32))) >>> (Int32.toUInt32 (4 : Int32) &&& Int32.toUInt32 31)).toInt32)) &&& (252645135 : Int32)) + ((Int32.toUInt32 (((((x0 - (((Int32.toUInt32 x0 >>> (Int32.toUInt32 (1 : Int32) &&& Int32.toUInt32 31)).toInt32) &&& (1431655765 : Int32))) &&& (858993459 : Int32)) + (((Int32.toUInt32 (x0 - (((Int32.toUInt32 x0 >>> (Int32.toUInt32 (1 : Int32) &&& Int32.toUInt32 31)).toInt32) &&& (1431655765 : Int32))) >>> (Int32.toUInt32 (2 : Int32) &&& Int32.toUInt32 31)).toInt32) &&& (858993459 : Int32))) + ((Int32.toUInt32 (((x0 - (((Int32.toUInt32 x0 >>> (Int32.toUInt32 (1 : Int32) &&& Int32.toUInt32 31)).toInt32) &&& (1431655765 : Int32))) &&& (858993459 : Int32)) + (((Int32.toUInt32 (x0 - (((Int32.toUInt32 x0 >>> (Int32.toUInt32 (1 : Int32) &&& Int32.toUInt32 31)).toInt32) &&& (1431655765 : Int32))) >>> (Int32.toUInt32 (2 : Int32) &&& Int32.toUInt32 31)).toInt32) &&& (858993459 : Int32))) >>> (Int32.toUInt32 (4 : Int32) &&& Int32.toUInt32 31)).toInt32)) &&& (252645135 : Int32)) >>> (Int32.toUInt32 (8 : Int32) &&& Int32.toUInt32 31)).toInt32)) >>> (Int32.toUInt32 (16 : Int32) &&& Int32.toUInt32 31)).toInt32)) &&& (63 : Int32))
theorem bcS_ok : ∀ n, n < 64 → bcS (nI n) = nI (pcN n) := by decide +kernel
theorem bitCount_ok {X : pG} {n : Nat} {h : pHeap} (hn : n < 64) : Call X k_jI_bitCount [.int (nI n)] h = some (.int (nI (pcN n)), h) := by
  rw [c_jI_bitCount, e_jI_bitCount_0, ← bcS_ok n hn]; rfl
theorem sumN_pow_lt {f : Nat → Nat} : ∀ n, (∀ k, k < n → f k ≤ 2 ^ k) → sumN f n < 2 ^ n
  | 0, _ => by show 0 < 1; decide
  | n + 1, h => by
    have h1 := sumN_pow_lt n (fun k hk => h k (by omega))
    have h2 := h n (by omega)
    show sumN f n + f n < 2 ^ (n + 1)
    rw [Nat.pow_succ]; omega
theorem setIf_ok {p : Nat → Prop} [DecidablePred p] : ∀ n, n ≤ 30 → setIf p n = nI (sumN (fun o => if p o then 2 ^ o else 0) n)
  | 0, _ => rfl
  | n + 1, h => by
    have ih := setIf_ok (p := p) n (by omega)
    have hlt := sumN_pow_lt (f := fun o => if p o then 2 ^ o else 0) n (fun k _ => by split <;> first | exact Nat.le_refl _ | exact Nat.zero_le _)
    show (if p n then setIf p n ||| ((1 : Int32) <<< (nI n &&& (31 : Int32))) else setIf p n) = nI (sumN (fun o => if p o then 2 ^ o else 0) n + if p n then 2 ^ n else 0)
    rw [ih]
    by_cases hc : p n
    · rw [if_pos hc, if_pos hc]
      have h2 : (2 : Nat) ^ n ≤ 2 ^ 30 := Nat.pow_le_pow_right (by decide) (by omega)
      have e1 : (1 : Int32) <<< (nI n &&& (31 : Int32)) = nI (1 * 2 ^ n) := shlN (a := 1) (by omega) (by omega)
      rw [e1, orN, Nat.one_mul]
      congr 1
      have := Nat.two_pow_add_eq_or_of_lt hlt 1
      rw [Nat.mul_one] at this
      rw [Nat.or_comm, ← this, Nat.add_comm]
    · rw [if_neg hc, if_neg hc, Nat.add_zero]
theorem lodgedS_ok {G : Nat} {r : Nat → Int32} {i : Int32} (hG : G ≤ 6) : lodgedS G r i = nI (lodN G r i) := setIf_ok G (by omega)
theorem lodN_lt {G : Nat} {r : Nat → Int32} {i : Int32} (hG : G ≤ 6) : lodN G r i < 64 := by
  have h := sumN_pow_lt (f := fun a => if r (6 + a) = i then 2 ^ a else 0) G (fun k _ => by split <;> first | exact Nat.le_refl _ | exact Nat.zero_le _)
  have h2 : (2 : Nat) ^ G ≤ 2 ^ 6 := Nat.pow_le_pow_right (by decide) hG
  unfold lodN; omega
def drmN (G : Nat) (r : Nat → Int32) : Nat := sumN (fun o => if ¬ r (12 + o) < 0 then 2 ^ o else 0) G
theorem dreamS_ok {G : Nat} {r : Nat → Int32} (hG : G ≤ 6) : dreamS G r = nI (drmN G r) := setIf_ok G (by omega)
theorem drmN_lt {G : Nat} {r : Nat → Int32} (hG : G ≤ 6) : drmN G r < 64 := by
  have h := sumN_pow_lt (f := fun o => if ¬ r (12 + o) < 0 then 2 ^ o else 0) G (fun k _ => by split <;> first | exact Nat.le_refl _ | exact Nat.zero_le _)
  have h2 : (2 : Nat) ^ G ≤ 2 ^ 6 := Nat.pow_le_pow_right (by decide) hG
  unfold drmN; omega
theorem bitsS_lp {n : Nat} (hn : n < 2147483648) : ∀ m, m ≤ 15 → foldN (fun o acc => acc + ((nI n >>> (nI o &&& (31 : Int32))) &&& (1 : Int32))) m 0 = nI (sumN (fun k => n / 2 ^ k % 2) m)
  | 0, _ => rfl
  | m + 1, h => by
    have ih := bitsS_lp hn m (by omega)
    show foldN _ m 0 + ((nI n >>> (nI m &&& (31 : Int32))) &&& (1 : Int32)) = nI (sumN _ m + n / 2 ^ m % 2)
    have e1 : nI n >>> (nI m &&& (31 : Int32)) = nI (n / 2 ^ m) := shrN hn (by omega)
    have e2 : nI (n / 2 ^ m) &&& (1 : Int32) = nI (n / 2 ^ m &&& 1) := andN _ 1
    rw [ih, e1, e2, nI_add, Nat.and_one_is_mod]
theorem bitsS_ok {n : Nat} (hn : n < 2147483648) : bitsS (nI n) = nI (pcN n) := bitsS_lp hn 15 (Nat.le_refl _)
theorem M_bits_n {X : pG} {n : Nat} {h : pHeap} (hn : n < 2147483648) : Call X k_M_bits [.int (nI n)] h = some (.int (nI (pcN n)), h) := by rw [M_bits_ok, bitsS_ok hn]
theorem pcN_le {n : Nat} : pcN n ≤ 15 := by
  have := sumN_le (w := fun k => n / 2 ^ k % 2) (c := 1) 15 (fun k _ => by have := Nat.mod_lt (n / 2 ^ k) (show 0 < 2 by decide); omega)
  unfold pcN; omega
theorem bI_t : bI true = nI 1 := Eq.trans rfl rfl
theorem bI_f : bI false = nI 0 := Eq.trans rfl rfl
theorem neg_ne {y : Int32} (h : y < 0) {k : Nat} (hk : k < 2147483648) : (y = nI k) = False := by
  refine eq_false fun e => ?_
  rw [e] at h; exact nI_pos (by omega) h
theorem neg_lt {y : Int32} (h : y < 0) : (y < nI 0) = True := eq_true h
def PR (X : pG) (kD kM : Nat) (args : List Value) (T : Nat → Nat → Nat) (LW : Nat → Option Lw) (r : Nat → Int32) (hn : Nat) (H : Nat → Nat → Int32) (hd : Nat → Option (Nat → Int32)) (tn : Nat) (tf : Nat → Nat) (bn : Nat) (bf : Nat → Nat) (pl : Int32) (T' : Nat → Nat → Nat) (LW' : Nat → Option Lw) (r' : Nat → Int32) (hn' : Nat) (H' : Nat → Nat → Int32) (hd' : Nat → Option (Nat → Int32)) (tn' : Nat) (tf' : Nat → Nat) (bn' : Nat) (bf' : Nat → Nat) (pl' : Int32) : Prop :=
  ∃ ret : Int32, (∀ I J tx sp bt tt, RC I J tx sp bt T LW r hn H hd tn tf bn bf pl → CC X kD (.ref 0 :: args) (.int ret) I J tx sp bt tt T' LW' r' hn' H' hd' tn' tf' bn' bf' pl') ∧ (∀ I J tx sp bt tt lv, RM I J lv T LW r hn H hd tn tf bn bf pl → CM X kM (.ref 527 :: args) (.int ret) I J tx sp bt tt T' LW' r' hn' H' hd' tn' tf' bn' bf' pl')
