/-! THE MODEL: WHAT READS THE ROW; THE ROW'S COPIES -/
def foldN {α : Type} (f : Nat → α → α) : Nat → α → α
  | 0, x => x
  | n + 1, x => f n (foldN f n x)
def cpN (I : Nat → Nat → Int32) (o2 o1 j : Nat) : Nat → Nat → Int32 := fun a b => if a = o2 ∧ b < j then I o1 b else I a b
theorem cpN_0 {I : Nat → Nat → Int32} {o2 o1 : Nat} : cpN I o2 o1 0 = I := by
  funext a b
  unfold cpN
  rw [if_neg (by omega)]
theorem cpN_step {I : Nat → Nat → Int32} {o2 o1 j : Nat} (h : o1 ≠ o2) : up2 (cpN I o2 o1 j) o2 j (cpN I o2 o1 j o1 j) = cpN I o2 o1 (j + 1) := by
  funext a b
  unfold up2 cpN
  by_cases ha : a = o2
  · by_cases hb : b = j
    · rw [if_pos ⟨ha, hb⟩, if_neg (fun q => h q.1), if_pos ⟨ha, by omega⟩, hb]
    · rw [if_neg (fun q => hb q.2)]
      by_cases hlt : b < j
      · rw [if_pos ⟨ha, hlt⟩, if_pos ⟨ha, by omega⟩]
      · rw [if_neg (fun q => hlt q.2), if_neg (fun q => by omega)]
  · rw [if_neg (fun q => ha q.1), if_neg (fun q => ha q.1), if_neg (fun q => ha q.1)]
/-- sets of guests by what a row says -/
def setIf (p : Nat → Prop) [DecidablePred p] (n : Nat) : Int32 := foldN (fun o acc => if p o then acc ||| ((1 : Int32) <<< (nI o &&& (31 : Int32))) else acc) n 0
def lodgedS (G : Nat) (r : Nat → Int32) (i : Int32) : Int32 := setIf (fun o => r (6 + o) = i) G
def dreamS (G : Nat) (r : Nat → Int32) : Int32 := setIf (fun o => ¬ r (12 + o) < 0) G
def alikeS (G : Nat) (r : Nat → Int32) (a : Nat) (th : Int32) : Int32 := foldN (fun o acc => if ¬ o = a ∧ r (12 + o) = th then acc + 1 else acc) G 0
def bitsS (x : Int32) : Int32 := foldN (fun o acc => acc + ((x >>> (nI o &&& (31 : Int32))) &&& (1 : Int32))) 15 0
section
variable {I : Nat → Nat → Int32} {J : Nat → Nat → Int64} {tx sp lv : Nat} {bt tt : Value} {X : pG} {T : Nat → Nat → Nat}
theorem M_bits_lp {x : Int32} {h : pHeap} : ∀ n j : Nat, j + n = 15 → Sm X k_M_bits 4 [.int x, .int (foldN (fun o acc => acc + ((x >>> (nI o &&& (31 : Int32))) &&& (1 : Int32))) j 0), .int (nI j)] [] h = some (.int (bitsS x), h)
  | n, j, hj => by
    rw [e_M_bits_4, show (15 : Int32) = nI 15 from rfl]
    cases n with
    | zero =>
      have e : j = 15 := hj
      subst e
      rw [if_neg (nI_nlt (Nat.le_refl _) (by omega))]
      rfl
    | succ n =>
      rw [if_pos (nI_lt (by omega) (by omega)), nI_1 j]
      exact M_bits_lp n (j + 1) (by omega)
theorem M_bits_ok {x : Int32} {h : pHeap} : Call X k_M_bits [.int x] h = some (.int (bitsS x), h) := by
  rw [c_M_bits, e_M_bits_0]
  exact M_bits_lp 15 0 rfl
theorem M_copies_lp : ∀ n j : Nat, j + n = 152 → Sm X k_M_copies 2 [.ref 527, .int (nI j)] [] (HH (cpN I 568 567 j) J tx sp bt tt) = Sm X k_M_copies 2 [.ref 527, .int (nI 152)] [] (HH (cpN I 568 567 152) J tx sp bt tt)
  | 0, j, hj => by
    have e : j = 152 := hj
    rw [e]
  | n + 1, j, hj => by
    rw [e_M_copies_2, show (152 : Int32) = nI 152 from rfl, if_pos (nI_lt (by omega) (by omega)), gM58, Option.bind_some, gM57, Option.bind_some, aM57 (by omega), Option.bind_some, sM58 (by omega), Option.bind_some, cpN_step (by decide), nI_1 j]
    exact M_copies_lp n (j + 1) (by omega)
theorem M_copies_ok (hT : mT I lv T) : Call X k_M_copies [.ref 527] (HH I J tx sp bt tt) = some (.retAddr 0, HH (up2 (cpN I 568 567 152) 527 59 (nI (T 5 0))) J tx sp bt tt) := by
  have h1 := M_copies_lp (X := X) (I := I) (J := J) (tx := tx) (sp := sp) (bt := bt) (tt := tt) 152 0 rfl
  rw [cpN_0] at h1
  have e1 : cpN I 568 567 152 527 18 = nI lv := hT.2.1
  have e2 : cpN I 568 567 152 554 lv = nI (T 5 0) := hT.2.2.2.2.2.2.2.1
  rw [C_M_copies, e_M_copies_0, show (0 : Int32) = nI 0 from rfl, h1, e_M_copies_2, show (152 : Int32) = nI 152 from rfl, if_neg (nI_nlt (Nat.le_refl _) (by omega)), gM40, Option.bind_some, gM18, Option.bind_some, e1, aM40 hT.1, Option.bind_some, e2, pM59, Option.bind_some]
theorem M_keepsRow_lp : ∀ n j : Nat, j + n = 152 → Sm X k_M_keepsRow 2 [.ref 527, .int (nI j)] [] (HH (cpN I 567 568 j) J tx sp bt tt) = some (.retAddr 0, HH (cpN I 567 568 152) J tx sp bt tt)
  | 0, j, hj => by
    have e : j = 152 := hj
    rw [e, e_M_keepsRow_2, show (152 : Int32) = nI 152 from rfl, if_neg (nI_nlt (Nat.le_refl _) (by omega))]
  | n + 1, j, hj => by
    rw [e_M_keepsRow_2, show (152 : Int32) = nI 152 from rfl, if_pos (nI_lt (by omega) (by omega)), gM57, Option.bind_some, gM58, Option.bind_some, aM58 (by omega), Option.bind_some, sM57 (by omega), Option.bind_some, cpN_step (by decide), nI_1 j]
    exact M_keepsRow_lp n (j + 1) (by omega)
theorem M_keepsRow_ok : Call X k_M_keepsRow [.ref 527] (HH I J tx sp bt tt) = some (.retAddr 0, HH (cpN I 567 568 152) J tx sp bt tt) := by
  have h1 := M_keepsRow_lp (X := X) (I := I) (J := J) (tx := tx) (sp := sp) (bt := bt) (tt := tt) 152 0 rfl
  rw [cpN_0] at h1
  rw [C_M_keepsRow, e_M_keepsRow_0, show (0 : Int32) = nI 0 from rfl, h1]
theorem M_lodgedAt_lp {i : Int32} (hT : mT I lv T) (hB : tB T) : ∀ n j : Nat, j + n = T 2 0 → Sm X k_M_lodgedAt 4 [.ref 527, .int i, .int (lodgedS j (I 568) i), .int (nI j)] [] (HH I J tx sp bt tt) = some (.int (lodgedS (T 2 0) (I 568) i), HH I J tx sp bt tt)
  | n, j, hj => by
    have h7 := hB.2.2.1
    rw [e_M_lodgedAt_4, gM31, Option.bind_some, gM18, Option.bind_some, hT.2.1, aM31 hT.1, Option.bind_some, hT.2.2.2.2.1]
    cases n with
    | zero =>
      have e : j = T 2 0 := hj
      subst e
      rw [if_neg (nI_nlt (Nat.le_refl _) (by omega))]
    | succ n =>
      have ih := M_lodgedAt_lp (i := i) hT hB n (j + 1) (by omega)
      rw [if_pos (nI_lt (by omega) (by omega)), gM58, Option.bind_some, show (6 : Int32) + nI j = nI (6 + j) from nI_add 6 j, aM58 (by omega), Option.bind_some, nI_1 j]
      by_cases hc : I 568 (6 + j) = i
      · rw [if_pos hc]
        have e : lodgedS (j + 1) (I 568) i = lodgedS j (I 568) i ||| ((1 : Int32) <<< (nI j &&& (31 : Int32))) := if_pos hc
        rw [← e]; exact ih
      · rw [if_neg hc]
        have e : lodgedS (j + 1) (I 568) i = lodgedS j (I 568) i := if_neg hc
        rw [← e]; exact ih
theorem M_lodgedAt_ok {i : Int32} (hT : mT I lv T) (hB : tB T) : Call X k_M_lodgedAt [.ref 527, .int i] (HH I J tx sp bt tt) = some (.int (lodgedS (T 2 0) (I 568) i), HH I J tx sp bt tt) := by
  rw [C_M_lodgedAt, e_M_lodgedAt_0]
  exact M_lodgedAt_lp hT hB (T 2 0) 0 (Nat.zero_add _)
theorem M_withDreams_lp (hT : mT I lv T) (hB : tB T) : ∀ n j : Nat, j + n = T 2 0 → Sm X k_M_withDreams 4 [.ref 527, .int (dreamS j (I 568)), .int (nI j)] [] (HH I J tx sp bt tt) = some (.int (dreamS (T 2 0) (I 568)), HH I J tx sp bt tt)
  | n, j, hj => by
    have h7 := hB.2.2.1
    rw [e_M_withDreams_4, gM31, Option.bind_some, gM18, Option.bind_some, hT.2.1, aM31 hT.1, Option.bind_some, hT.2.2.2.2.1]
    cases n with
    | zero =>
      have e : j = T 2 0 := hj
      subst e
      rw [if_neg (nI_nlt (Nat.le_refl _) (by omega))]
    | succ n =>
      have ih := M_withDreams_lp hT hB n (j + 1) (by omega)
      rw [if_pos (nI_lt (by omega) (by omega)), gM58, Option.bind_some, show (12 : Int32) + nI j = nI (12 + j) from nI_add 12 j, aM58 (by omega), Option.bind_some, nI_1 j]
      by_cases hc : I 568 (12 + j) < 0
      · rw [if_pos hc]
        have e : dreamS (j + 1) (I 568) = dreamS j (I 568) := if_neg (fun q => q hc)
        rw [← e]; exact ih
      · rw [if_neg hc]
        have e : dreamS (j + 1) (I 568) = dreamS j (I 568) ||| ((1 : Int32) <<< (nI j &&& (31 : Int32))) := if_pos hc
        rw [← e]; exact ih
theorem M_withDreams_ok (hT : mT I lv T) (hB : tB T) : Call X k_M_withDreams [.ref 527] (HH I J tx sp bt tt) = some (.int (dreamS (T 2 0) (I 568)), HH I J tx sp bt tt) := by
  rw [C_M_withDreams, e_M_withDreams_0]
  exact M_withDreams_lp hT hB (T 2 0) 0 (Nat.zero_add _)
theorem M_alikeTo_lp {a : Nat} {th : Int32} (ha : a < 6) (hT : mT I lv T) (hB : tB T) : ∀ n j : Nat, j + n = T 2 0 → Sm X k_M_alikeTo 5 [.ref 527, .int (nI a), .int th, .int (alikeS j (I 568) a th), .int (nI j)] [] (HH I J tx sp bt tt) = some (.int (alikeS (T 2 0) (I 568) a th), HH I J tx sp bt tt)
  | n, j, hj => by
    have h7 := hB.2.2.1
    rw [e_M_alikeTo_5, gM31, Option.bind_some, gM18, Option.bind_some, hT.2.1, aM31 hT.1, Option.bind_some, hT.2.2.2.2.1]
    cases n with
    | zero =>
      have e : j = T 2 0 := hj
      subst e
      rw [if_neg (nI_nlt (Nat.le_refl _) (by omega))]
    | succ n =>
      have ih := M_alikeTo_lp (th := th) ha hT hB n (j + 1) (by omega)
      rw [if_pos (nI_lt (by omega) (by omega)), gM58, nI_1 j]
      by_cases hja : j = a
      · have e : alikeS (j + 1) (I 568) a th = alikeS j (I 568) a th := if_neg (fun q => q.1 hja)
        rw [if_pos (by rw [hja]), ← e]; exact ih
      · rw [if_neg (fun q => hja ((nI_eq (by omega) (by omega)).mp q)), Option.bind_some, show (12 : Int32) + nI j = nI (12 + j) from nI_add 12 j, aM58 (by omega), Option.bind_some]
        by_cases hc : I 568 (12 + j) = th
        · have e : alikeS (j + 1) (I 568) a th = alikeS j (I 568) a th + 1 := if_pos ⟨hja, hc⟩
          rw [if_pos hc, ← e]; exact ih
        · have e : alikeS (j + 1) (I 568) a th = alikeS j (I 568) a th := if_neg (fun q => hc q.2)
          rw [if_neg hc, ← e]; exact ih
theorem M_alikeTo_ok {a : Nat} {th : Int32} (ha : a < 6) (hT : mT I lv T) (hB : tB T) : Call X k_M_alikeTo [.ref 527, .int (nI a), .int th] (HH I J tx sp bt tt) = some (.int (alikeS (T 2 0) (I 568) a th), HH I J tx sp bt tt) := by
  rw [C_M_alikeTo, e_M_alikeTo_0]
  exact M_alikeTo_lp ha hT hB (T 2 0) 0 (Nat.zero_add _)
end
