/-! PROMISES 18, 19: LODGING, WHAT IT IS -/
def snoc (l : Nat → Nat) (k d : Nat) : Nat → Nat := fun i => if i = k then d else l i
def digF (b : Nat) : Nat → Nat → Nat → Nat
  | 0, _ => fun _ => 0
  | k + 1, w => snoc (digF b k (w / b)) k (w % b)
theorem digF_at {b i : Nat} : ∀ k w, i < k → digF b k w i = w / b ^ (k - 1 - i) % b
  | 0, _, h => absurd h (Nat.not_lt_zero _)
  | k + 1, w, h => by
    show (if i = k then w % b else digF b k (w / b) i) = _
    by_cases e : i = k
    · rw [if_pos e, e, show k + 1 - 1 - k = 0 by omega, Nat.pow_zero, Nat.div_one]
    · rw [if_neg e, digF_at k (w / b) (by omega), Nat.div_div_eq_div_mul, ← Nat.pow_succ', show (k - 1 - i).succ = k + 1 - 1 - i by omega]
theorem digF_lt {b i : Nat} (hb : 0 < b) : ∀ k w, digF b k w i < b
  | 0, _ => hb
  | k + 1, w => by
    show (if i = k then w % b else digF b k (w / b) i) < b
    split
    · exact Nat.mod_lt _ hb
    · exact digF_lt hb k (w / b)
def itF {β : Type} (g : Nat → β → β) : Nat → β → β
  | 0, b => b
  | d + 1, b => g d (itF g d b)
def fo2 {β : Type} (n : Nat) : Nat → (β → (Nat → Nat) → β) → β → β
  | 0, f, b => f b (fun _ => 0)
  | k + 1, f, b => fo2 n k (fun b l => itF (fun d b => f b (snoc l k d)) n b) b
def fU {β : Type} (f : β → Nat → β) (lo : Nat) : Nat → β → β
  | 0, b => b
  | c + 1, b => f (fU f lo c b) (lo + c)
theorem itF_congr {β : Type} {g g2 : Nat → β → β} : ∀ n b, (∀ d, d < n → ∀ b, g d b = g2 d b) → itF g n b = itF g2 n b
  | 0, _, _ => rfl
  | n + 1, b, h => by
    show g n (itF g n b) = g2 n (itF g2 n b)
    rw [itF_congr n b (fun d hd => h d (Nat.lt_succ_of_lt hd)), h n (Nat.lt_succ_self n)]
theorem itF_id {β : Type} {g : Nat → β → β} : ∀ n b, (∀ d, d < n → ∀ b, g d b = b) → itF g n b = b
  | 0, _, _ => rfl
  | n + 1, b, h => by
    show g n (itF g n b) = b
    rw [h n (Nat.lt_succ_self n), itF_id n b (fun d hd => h d (Nat.lt_succ_of_lt hd))]
theorem itF_cut {β : Type} {g : Nat → β → β} {n : Nat} : ∀ m b, (∀ d, n ≤ d → ∀ b, g d b = b) → itF g (n + m) b = itF g n b
  | 0, _, _ => rfl
  | m + 1, b, h => by
    show g (n + m) (itF g (n + m) b) = itF g n b
    rw [h (n + m) (Nat.le_add_right n m), itF_cut m b h]
theorem fU_add {β : Type} {f : β → Nat → β} {lo c1 : Nat} {b : β} : ∀ c2, fU f lo (c1 + c2) b = fU f (lo + c1) c2 (fU f lo c1 b)
  | 0 => rfl
  | c2 + 1 => by
    show f (fU f lo (c1 + c2) b) (lo + (c1 + c2)) = f (fU f (lo + c1) c2 (fU f lo c1 b)) (lo + c1 + c2)
    rw [fU_add c2, Nat.add_assoc]
theorem fU_it {β : Type} {g : β → Nat → β} {lo : Nat} {b : β} : ∀ n, fU g lo n b = itF (fun d b => g b (lo + d)) n b
  | 0 => rfl
  | n + 1 => by
    show g (fU g lo n b) (lo + n) = g (itF (fun d b => g b (lo + d)) n b) (lo + n)
    rw [fU_it n]
theorem fU_blk {β : Type} {g : β → Nat → β} {n : Nat} {b : β} : ∀ m, fU g 0 (m * n) b = fU (fun b q => itF (fun d b => g b (q * n + d)) n b) 0 m b
  | 0 => by rw [Nat.zero_mul]; rfl
  | m + 1 => by
    rw [Nat.succ_mul, fU_add, fU_blk m, fU_it]
    show itF (fun d b => g b (0 + m * n + d)) n _ = itF (fun d b => g b ((0 + m) * n + d)) n _
    rw [Nat.zero_add, Nat.zero_add]
theorem fU_dig {β : Type} {n : Nat} : ∀ k (f : β → (Nat → Nat) → β) (b : β), fU (fun b w => f b (digF n k w)) 0 (n ^ k) b = fo2 n k f b
  | 0, f, b => rfl
  | k + 1, f, b => by
    have ih := fU_dig (n := n) k (fun b l => itF (fun d b => f b (snoc l k d)) n b) b
    show _ = fo2 n k (fun b l => itF (fun d b => f b (snoc l k d)) n b) b
    rw [← ih, Nat.pow_succ, fU_blk]
    congr 1
    funext b q
    refine itF_congr n b (fun d hd b => ?_)
    show f b (snoc (digF n k ((q * n + d) / n)) k ((q * n + d) % n)) = f b (snoc (digF n k q) k d)
    have h0 : 0 < n := by omega
    have e1 : (q * n + d) / n = q := by rw [Nat.add_comm, Nat.mul_comm, Nat.add_mul_div_left _ _ h0, Nat.div_eq_of_lt hd, Nat.zero_add]
    have e2 : (q * n + d) % n = d := by rw [Nat.add_comm, Nat.mul_comm, Nat.add_mul_mod_self_left, Nat.mod_eq_of_lt hd]
    rw [e1, e2]
theorem fo2_le {β : Type} {n : Nat} (hn : n ≤ 5) : ∀ k (f : β → (Nat → Nat) → β) (b : β), (∀ b l, (∃ i, i < k ∧ n ≤ l i) → f b l = b) → fo2 5 k f b = fo2 n k f b
  | 0, _, _, _ => rfl
  | k + 1, f, b, h => by
    show fo2 5 k (fun b l => itF (fun d b => f b (snoc l k d)) 5 b) b = fo2 n k (fun b l => itF (fun d b => f b (snoc l k d)) n b) b
    have e : (fun (b : β) (l : Nat → Nat) => itF (fun d b => f b (snoc l k d)) 5 b) = (fun b l => itF (fun d b => f b (snoc l k d)) n b) := by
      funext b l
      obtain ⟨m, hm⟩ : ∃ m, 5 = n + m := ⟨5 - n, by omega⟩
      rw [hm]
      refine itF_cut m b (fun d hd b => h b _ ⟨k, Nat.lt_succ_self k, ?_⟩)
      show n ≤ (if k = k then d else l k)
      rw [if_pos rfl]; exact hd
    rw [e]
    refine fo2_le hn k _ b (fun b l hl => ?_)
    obtain ⟨i, hi, hl⟩ := hl
    refine itF_id n b (fun d _ b => h b _ ⟨i, Nat.lt_succ_of_lt hi, ?_⟩)
    show n ≤ (if i = k then d else l i)
    rw [if_neg (by omega)]; exact hl
/-- the guests of a set, in their order -/
def memL (S : Nat) : Nat → List Nat
  | 0 => []
  | g + 1 => if S / 2 ^ g % 2 = 1 then memL S g ++ [g] else memL S g
def kN (S a : Nat) : Nat := (memL S a).length
def mA (S i : Nat) : Nat := (memL S 6).getD i 0
theorem memL_pc : ∀ S, S < 64 → kN S 6 = pcN S := by decide +kernel
theorem memL_pre : ∀ S, S < 64 → ∀ a, a < 6 → pcN (S &&& (2 ^ a - 1)) = kN S a := by decide +kernel
theorem memL_G1 : ∀ G, G < 7 → ∀ S, S < 64 → ∀ i, i < 6 → (S < 2 ^ G ∧ i < kN S 6) → mA S i < G := by decide +kernel
theorem memL_G2 : ∀ G, G < 7 → ∀ S, S < 64 → (S < 2 ^ G ∧ True) → kN S G = kN S 6 := by decide +kernel
theorem memL_G (G : Nat) (hG : G < 7) (S : Nat) (hS : S < 64) (h : S < 2 ^ G) : kN S G = kN S 6 ∧ ∀ i, i < 6 → i < kN S 6 → mA S i < G := ⟨memL_G2 G hG S hS ⟨h, trivial⟩, fun i hi h2 => memL_G1 G hG S hS i hi ⟨h, h2⟩⟩
theorem memL_at : ∀ S, S < 64 → ∀ a, a < 6 → S / 2 ^ a % 2 = 1 → mA S (kN S a) = a ∧ kN S a < kN S 6 ∧ kN S (a + 1) = kN S a + 1 := by decide +kernel
theorem memL_no : ∀ S, S < 64 → ∀ a, a < 6 → S / 2 ^ a % 2 ≠ 1 → kN S (a + 1) = kN S a := by decide +kernel
theorem memL_le : ∀ S, S < 64 → ∀ a, a < 7 → kN S a ≤ kN S 6 ∧ kN S a ≤ 6 := by decide +kernel
theorem and_not : ∀ u, u < 64 → ∀ S, S < 64 → nI u &&& (nI S ^^^ (-1 : Int32)) = nI (u - (u &&& S)) ∧ pcN (u - (u &&& S)) ≤ pcN u := by decide +kernel
def m1N (T : Nat → Nat → Nat) (i : Nat) : Nat := if 1 < allN T i then allN T i else 1
theorem m1_ok {T : Nat → Nat → Nat} (hB : tB T) {i : Nat} (hi : i < 5) : 1 ≤ m1N T i ∧ m1N T i ≤ 63 := by
  have := allN_le hB hi
  unfold m1N; split <;> omega
theorem m1_I {T : Nat → Nat → Nat} {i : Nat} (h : allN T i ≤ 63) : (if nI 1 < nI (allN T i) then nI (allN T i) else nI 1) = nI (m1N T i) := by
  unfold m1N
  by_cases h1 : 1 < allN T i
  · rw [if_pos h1, if_pos (nI_lt h1 (by omega))]
  · rw [if_neg h1, if_neg (nI_nlt (by omega) (by omega))]
/-- the class's denominator, the model's -/
def blw (T : Nat → Nat → Nat) : Nat → Nat
  | 0 => 1
  | i + 1 => blw T i / Nat.gcd (blw T i) (m1N T i) * m1N T i
def whl (T : Nat → Nat → Nat) : Nat → Nat
  | 0 => 1
  | i + 1 => whl T i * m1N T i
theorem blw_ok {T : Nat → Nat → Nat} (hB : tB T) : ∀ n, n ≤ 5 → 1 ≤ blw T n ∧ blw T n ≤ 63 ^ n ∧ (∀ i, i < n → m1N T i ∣ blw T n) ∧ ∃ c, 0 < c ∧ whl T n = c * blw T n
  | 0, _ => ⟨Nat.le_refl 1, Nat.le_refl 1, fun i hi => absurd hi (Nat.not_lt_zero _), 1, by decide, rfl⟩
  | n + 1, hn => by
    obtain ⟨h1, h2, h3, c, h4, h5⟩ := blw_ok hB n (by omega)
    obtain ⟨m1, m2⟩ := m1_ok hB (show n < 5 by omega)
    have hg : 0 < Nat.gcd (blw T n) (m1N T n) := Nat.gcd_pos_of_pos_left _ h1
    have hd := Nat.gcd_dvd_left (blw T n) (m1N T n)
    have hd2 := Nat.gcd_dvd_right (blw T n) (m1N T n)
    have hle : blw T n / Nat.gcd (blw T n) (m1N T n) ≤ blw T n := Nat.div_le_self _ _
    have hpos : 0 < blw T n / Nat.gcd (blw T n) (m1N T n) := Nat.div_pos (Nat.le_of_dvd h1 hd) hg
    have hmul := Nat.div_mul_cancel hd
    refine ⟨Nat.mul_pos hpos m1, ?_, ?_, c * Nat.gcd (blw T n) (m1N T n), Nat.mul_pos h4 hg, ?_⟩
    · show blw T n / Nat.gcd (blw T n) (m1N T n) * m1N T n ≤ 63 ^ (n + 1)
      rw [Nat.pow_succ]
      exact Nat.mul_le_mul (Nat.le_trans hle h2) m2
    · intro i hi
      show m1N T i ∣ blw T n / Nat.gcd (blw T n) (m1N T n) * m1N T n
      by_cases e : i = n
      · rw [e]; exact Nat.dvd_mul_left _ _
      · obtain ⟨y, hy⟩ := hd2
        refine Nat.dvd_trans (h3 i (by omega)) ⟨y, ?_⟩
        calc blw T n / Nat.gcd (blw T n) (m1N T n) * m1N T n = blw T n / Nat.gcd (blw T n) (m1N T n) * (Nat.gcd (blw T n) (m1N T n) * y) := by rw [← hy]
          _ = blw T n * y := by rw [← Nat.mul_assoc, hmul]
    · show whl T n * m1N T n = c * Nat.gcd (blw T n) (m1N T n) * (blw T n / Nat.gcd (blw T n) (m1N T n) * m1N T n)
      rw [h5]
      generalize Nat.gcd (blw T n) (m1N T n) = g at hmul ⊢
      generalize blw T n / g = q at hmul ⊢
      rw [← hmul, Nat.mul_assoc c g, ← Nat.mul_assoc g q, Nat.mul_comm g q, Nat.mul_assoc c]
theorem whl_ok {T : Nat → Nat → Nat} (hB : tB T) : ∀ n, n ≤ 5 → 1 ≤ whl T n ∧ whl T n ≤ 63 ^ n
  | 0, _ => ⟨Nat.le_refl 1, Nat.le_refl 1⟩
  | n + 1, hn => by
    obtain ⟨h1, h2⟩ := whl_ok hB n (by omega)
    obtain ⟨m1, m2⟩ := m1_ok hB (show n < 5 by omega)
    refine ⟨Nat.mul_pos h1 m1, ?_⟩
    show whl T n * m1N T n ≤ 63 ^ (n + 1)
    rw [Nat.pow_succ]
    exact Nat.mul_le_mul h2 m2
theorem pow63 {n : Nat} (hn : n ≤ 5) : 63 ^ n ≤ 992436543 := Nat.le_trans (Nat.pow_le_pow_right (by decide) hn) (by decide)
def cstN (T : Nat → Nat → Nat) (LW : Nat → Option Lw) (r : Nat → Int32) (B a i : Nat) : Nat := T 7 i * B + meanN T LW r a i (T 0 0) * (B / m1N T i)
theorem cst_le {T : Nat → Nat → Nat} {LW : Nat → Option Lw} {r : Nat → Int32} {B a i : Nat} (hB : tB T) (hi : i < 5) (hb : B ≤ 992436543) : cstN T LW r B a i ≤ 63036 * 992436543 := by
  have h1 : T 7 i ≤ 99 := (hB.2.2.2.2.2.2.2.1 i hi).1
  have h2 : meanN T LW r a i (T 0 0) ≤ 62937 := meanN_le hB hi hB.1
  have h3 : B / m1N T i ≤ 992436543 := Nat.le_trans (Nat.div_le_self _ _) hb
  have h4 : T 7 i * B ≤ 99 * 992436543 := Nat.mul_le_mul h1 hb
  have h5 : meanN T LW r a i (T 0 0) * (B / m1N T i) ≤ 62937 * 992436543 := Nat.mul_le_mul h2 h3
  unfold cstN; omega
theorem cst_mul {T : Nat → Nat → Nat} {LW : Nat → Option Lw} {r : Nat → Int32} {B c a i : Nat} (hd : m1N T i ∣ B) (h1 : 0 < m1N T i) : cstN T LW r (c * B) a i = c * cstN T LW r B a i := by
  obtain ⟨q, rfl⟩ := hd
  have e1 : c * (m1N T i * q) / m1N T i = c * q := by rw [← Nat.mul_assoc, Nat.mul_comm c, Nat.mul_assoc, Nat.mul_div_cancel_left _ h1]
  have e2 : m1N T i * q / m1N T i = q := Nat.mul_div_cancel_left _ h1
  unfold cstN
  rw [e1, e2, Nat.mul_add]
  congr 1
  · rw [← Nat.mul_assoc, Nat.mul_comm (T 7 i) c, Nat.mul_assoc]
  · rw [← Nat.mul_assoc, Nat.mul_comm _ c, Nat.mul_assoc]
def cuN (l : Nat → Nat) (x m : Nat) : Nat := sumN (fun i => if l i = x then 1 else 0) m
def totN (T : Nat → Nat → Nat) (LW : Nat → Option Lw) (r : Nat → Int32) (S B : Nat) (l : Nat → Nat) (m : Nat) : Nat := sumN (fun i => cstN T LW r B (mA S i) (l i)) m
def outN (T : Nat → Nat → Nat) (r : Nat → Int32) (S i : Nat) : Nat := pcN (lodN (T 2 0) r (nI i) - (lodN (T 2 0) r (nI i) &&& S))
theorem out_le {T : Nat → Nat → Nat} {r : Nat → Int32} {S i : Nat} (hR : rI T r) (hG : T 2 0 ≤ 6) (hS : S < 64) (hi : i < T 1 0) : outN T r S i ≤ T 8 i :=
  Nat.le_trans (and_not _ (lodN_lt (r := r) (i := nI i) hG) S hS).2 (hR.2.2.2.2 i hi)
theorem cuN_le {l : Nat → Nat} {x : Nat} : ∀ m, cuN l x m ≤ m
  | 0 => Nat.le_refl 0
  | m + 1 => by
    have := cuN_le (l := l) (x := x) m
    have e : cuN l x (m + 1) = cuN l x m + if l m = x then 1 else 0 := rfl
    rw [e]; split <;> omega
theorem tot_le {T : Nat → Nat → Nat} {LW : Nat → Option Lw} {r : Nat → Int32} {S B : Nat} {l : Nat → Nat} (hB : tB T) (hb : B ≤ 992436543) (hl : ∀ i, l i < 5) {m : Nat} (hm : m ≤ 6) : totN T LW r S B l m ≤ 6 * (63036 * 992436543) := by
  have h := sumN_le (w := fun i => cstN T LW r B (mA S i) (l i)) (c := 63036 * 992436543) m (fun k _ => cst_le hB (hl k) hb)
  have h2 : 63036 * 992436543 * m ≤ 63036 * 992436543 * 6 := Nat.mul_le_mul_left _ hm
  unfold totN; omega
theorem tot_mul {T : Nat → Nat → Nat} {LW : Nat → Option Lw} {r : Nat → Int32} {S B c n : Nat} {l : Nat → Nat} (hd : ∀ i, i < n → m1N T i ∣ B) (h1 : ∀ i, i < n → 0 < m1N T i) : ∀ m, (∀ i, i < m → l i < n) → totN T LW r S (c * B) l m = c * totN T LW r S B l m
  | 0, _ => rfl
  | m + 1, hl => by
    have e1 : totN T LW r S (c * B) l (m + 1) = totN T LW r S (c * B) l m + cstN T LW r (c * B) (mA S m) (l m) := rfl
    have e2 : totN T LW r S B l (m + 1) = totN T LW r S B l m + cstN T LW r B (mA S m) (l m) := rfl
    rw [e1, e2, tot_mul hd h1 m (fun i hi => hl i (by omega)), cst_mul (hd _ (hl m (by omega))) (h1 _ (hl m (by omega))), Nat.mul_add]
def fitB (T : Nat → Nat → Nat) (r : Nat → Int32) (S k : Nat) (l : Nat → Nat) : Nat → Bool
  | 0 => true
  | n + 1 => fitB T r S k l n && decide (outN T r S n + cuN l n k ≤ T 8 n)
def lowB (l : Nat → Nat) (n : Nat) : Nat → Bool
  | 0 => true
  | k + 1 => lowB l n k && decide (l k < n)
theorem lowB_t {l : Nat → Nat} {n : Nat} : ∀ k, lowB l n k = true ↔ ∀ i, i < k → l i < n
  | 0 => ⟨fun _ i hi => absurd hi (Nat.not_lt_zero _), fun _ => rfl⟩
  | k + 1 => by
    show (lowB l n k && decide (l k < n)) = true ↔ _
    rw [Bool.and_eq_true, lowB_t k, decide_eq_true_iff]
    constructor
    · rintro ⟨h1, h2⟩ i hi
      by_cases e : i = k
      · rw [e]; exact h2
      · exact h1 i (by omega)
    · intro h
      exact ⟨fun i hi => h i (by omega), h k (by omega)⟩
/-- one way more: taken if it fits and costs less -/
def stpL (T : Nat → Nat → Nat) (LW : Nat → Option Lw) (r : Nat → Int32) (S k n B : Nat) (b : Option (Nat → Nat)) (l : Nat → Nat) : Option (Nat → Nat) :=
  if (lowB l n k && fitB T r S k l n) = true then (match b with
    | none => some l
    | some l0 => if totN T LW r S B l k < totN T LW r S B l0 k then some l else some l0) else b
def bstL (T : Nat → Nat → Nat) (LW : Nat → Option Lw) (r : Nat → Int32) (S : Nat) : Option (Nat → Nat) := fo2 (T 1 0) (kN S 6) (stpL T LW r S (kN S 6) (T 1 0) (blw T (T 1 0))) none
theorem bst_class {T : Nat → Nat → Nat} {LW : Nat → Option Lw} {r : Nat → Int32} {S : Nat} : fU (fun b w => stpL T LW r S (kN S 6) (T 1 0) (blw T (T 1 0)) b (digF (T 1 0) (kN S 6) w)) 0 (T 1 0 ^ kN S 6) none = bstL T LW r S := fU_dig _ _ _
theorem bst_model {T : Nat → Nat → Nat} {LW : Nat → Option Lw} {r : Nat → Int32} {S : Nat} (hn : T 1 0 ≤ 5) : fU (fun b w => stpL T LW r S (kN S 6) (T 1 0) (blw T (T 1 0)) b (digF 5 (kN S 6) w)) 0 (5 ^ kN S 6) none = bstL T LW r S := by
  rw [fU_dig]
  refine fo2_le hn _ _ _ (fun b l hl => ?_)
  obtain ⟨i, hi, hl⟩ := hl
  unfold stpL
  rw [if_neg]
  intro z
  rw [Bool.and_eq_true, lowB_t] at z
  have := z.1 i hi
  omega
theorem stp_sound {T : Nat → Nat → Nat} {LW : Nat → Option Lw} {r : Nat → Int32} {S k n B : Nat} {b : Option (Nat → Nat)} {l : Nat → Nat} (hb : ∀ q, b = some q → ∀ i, i < k → q i < n) : ∀ q, stpL T LW r S k n B b l = some q → ∀ i, i < k → q i < n := by
  intro q hq
  unfold stpL at hq
  split at hq
  · rename_i h
    rw [Bool.and_eq_true, lowB_t] at h
    cases b with
    | none => cases hq; exact h.1
    | some l0 =>
      dsimp only at hq
      split at hq
      · cases hq; exact h.1
      · cases hq; exact hb _ rfl
  · exact hb q hq
